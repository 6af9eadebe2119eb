/** Promise 1: all as at first. */
public final class NewObjectTest {
    public static void main(String[] args) {
        ImmunityCatching x = new ImmunityCatching();
        int[] first = {0, 0, 1, 0, 0, 0, 0, 0, 0, 0, 1};
        for (int what = 0; what < first.length; what++) {
            Due.due("count(" + what + ")", x.count(what), first[what]);
        }
        for (int street = 0; street < 8; street++) {
            Due.due("street(" + street + ", 0)", x.street(street, 0), 0);
            Due.due("street(" + street + ", 1)", x.street(street, 1), 0);
        }
        Due.due("law(0, ..)", x.law(0, 0, 0, 0), 1);
        Due.due("law(1, 5, ..)", x.law(1, 5, 0, 0), 0);
        Due.due("law(1, 6, ..)", x.law(1, 6, 0, 0), 1);
        for (int k = 1; k <= 5; k++) {
            Due.due("told(" + k + ")", x.told(k), 0);
        }
        Due.due("ofSoul(0, 0)", x.ofSoul(0, 0), Due.BEYOND);
        Due.due("restore()", x.restore(), Due.NONE);
        Due.due("trace(0)", x.trace(0), Due.NONE);
        for (int sheet = 0; sheet < 4; sheet++) {
            Due.due("frees(" + sheet + ")", x.frees(sheet), Due.NONE);
        }
        Due.due("told(1)", x.told(1), 1);
        Due.due("told(2)", x.told(2), 6);
        Due.due("check()", x.check(), 0);
        Due.due("image()", x.image(), 1);
        Due.end();
    }
}
