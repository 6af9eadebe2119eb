import java.io.IOException;
import java.lang.reflect.Constructor;
import java.lang.reflect.Field;
import java.lang.reflect.Member;
import java.lang.reflect.Method;
import java.lang.reflect.Modifier;
import java.nio.file.Files;
import java.nio.file.Path;
import java.util.ArrayList;
import java.util.List;
import java.util.Set;
import java.util.TreeSet;
import java.util.regex.Matcher;
import java.util.regex.Pattern;

/** The document's public face, and those rules of LANGUAGE.md that can be seen in the class and in its text. */
public final class FaceTest {
    private static final String[] FACE = {
        "soul(int,int)", "ofSoul(int,int)", "change(int,int,int)", "become(int,int)", "as(int,int)", "loss(int)",
        "street(int,int)", "meet(int,int)", "feed(long,int)", "text(int)", "law(int,int,int,int)", "steps(int)",
        "loose(int)", "then(int,int,int)", "last(int,int)", "reaches(int)", "gloves(int,int)", "from(int,int)",
        "stand(int,int,int)", "crush(int,int)", "dies()", "touch(int,int,int)", "done(int)", "odds(int,int,int)",
        "seed(int)", "voice(int,int,int)", "trace(int)", "sheet(int,int,int)", "put(int,int,int)",
        "move(int,int,int,int,int)", "frees(int)", "judge(int)", "image()", "restore()", "tell(int)", "check()",
        "count(int)", "told(int)",
    };

    public static void main(String[] args) throws IOException {
        face();
        faceOfDocument();
        insides();
        text();
        Due.end();
    }

    static Set<String> names() {
        Set<String> names = new TreeSet<>();
        for (String method : FACE) {
            names.add(method.substring(0, method.indexOf('(')));
        }
        return names;
    }

    private static String signature(Method method) {
        StringBuilder told = new StringBuilder(method.getName()).append('(');
        Class<?>[] types = method.getParameterTypes();
        for (int i = 0; i < types.length; i++) {
            told.append(i == 0 ? "" : ",").append(types[i].getName());
        }
        return told.append(')').toString();
    }

    private static void face() {
        Class<?> type = ImmunityCatching.class;
        Due.due("public and final", Modifier.isPublic(type.getModifiers()) && Modifier.isFinal(type.getModifiers()));
        Due.due("no package", type.getPackageName().isEmpty());
        Set<String> found = new TreeSet<>();
        for (Method method : type.getDeclaredMethods()) {
            if (!Modifier.isPrivate(method.getModifiers())) {
                Due.due(method.getName() + " is public, not static, and answers an int",
                    Modifier.isPublic(method.getModifiers()) && !Modifier.isStatic(method.getModifiers())
                        && method.getReturnType() == int.class);
                found.add(signature(method));
            }
        }
        Due.due("the methods of the face and no other: " + found, found.equals(new TreeSet<>(List.of(FACE))));
        Constructor<?>[] makers = type.getDeclaredConstructors();
        Due.due("one constructor, public, of nothing", makers.length == 1 && Modifier.isPublic(makers[0].getModifiers())
            && makers[0].getParameterCount() == 0);
        for (Field field : type.getDeclaredFields()) {
            Due.due(field.getName() + " is private", Modifier.isPrivate(field.getModifiers()));
        }
    }

    /** Goes by the document, if it is there: whoever has the project alone can still run its tests. */
    private static void faceOfDocument() throws IOException {
        if (!Files.isRegularFile(Edge.DOCUMENT)) {
            System.out.println("no " + Edge.DOCUMENT + " here: the face is not compared with it");
            return;
        }
        String document = Files.readString(Edge.DOCUMENT);
        int from = document.indexOf("public final class ImmunityCatching {");
        int to = document.indexOf("\n}", Math.max(0, from));
        Due.due("the document has a face", from >= 0 && to > from);
        Set<String> said = new TreeSet<>();
        Matcher method = Pattern.compile("public int (\\w+)\\(([^)]*)\\);").matcher(document).region(Math.max(0, from),
            Math.max(from, to));
        while (method.find()) {
            String types = method.group(2).replaceAll("(int|long) \\w+", "$1").replace(" ", "");
            said.add(method.group(1) + "(" + types + ")");
        }
        Due.due("the face of the document: " + said, said.equals(new TreeSet<>(List.of(FACE))));
    }

    private static void insides() {
        Set<String> names = names();
        List<Class<?>> all = new ArrayList<>(List.of(ImmunityCatching.class.getDeclaredClasses()));
        Due.due("at most twelve classes", all.size() < 12);
        for (Class<?> type : all) {
            Due.due(type.getName() + " is private and static",
                Modifier.isStatic(type.getModifiers()) && Modifier.isPrivate(type.getModifiers()));
        }
        all.add(ImmunityCatching.class);
        for (Class<?> type : all) {
            for (Method method : type.getDeclaredMethods()) {
                Due.due(type.getName() + "'s " + method.getName() + " has at most seven parameters",
                    method.getParameterCount() <= 7);
                boolean ofFace = type == ImmunityCatching.class && Modifier.isPublic(method.getModifiers());
                Due.due(type.getName() + "'s " + method.getName() + " bears no name of the face",
                    ofFace || !names.contains(method.getName()));
            }
            fields(type);
        }
    }

    private static void fields(Class<?> type) {
        int many = 0;
        for (Member field : type.getDeclaredFields()) {
            boolean isStatic = Modifier.isStatic(field.getModifiers());
            Due.due(type.getName() + "'s " + field.getName() + " is final, if it is static",
                !isStatic || Modifier.isFinal(field.getModifiers()));
            many += isStatic ? 0 : 1;
        }
        Due.due(type.getName() + " has at most twenty fields", many <= 20);
    }

    private static void text() throws IOException {
        String text = Files.readString(Path.of("src/main/java/ImmunityCatching.java"));
        for (char c : text.toCharArray()) {
            if (c > 126) {
                Due.due("a sign beyond 126", c, ' ');
            }
        }
        String code = text.replaceAll("(?s)/\\*.*?\\*/", "").replaceAll("//[^\n]*", "");
        Matcher word = Pattern.compile("\\b(throw|throws|try|catch|synchronized|assert|import|package|String|Random|"
            + "Object|double|float|volatile|native|protected)\\b|->|::|\"|@").matcher(code);
        while (word.find()) {
            Due.due("not used: " + word.group(), 0, 1);
        }
        Matcher call = Pattern.compile("\\b(Math|Integer|Long|System|Arrays)\\.(\\w+)").matcher(code);
        while (call.find()) {
            Due.due("of the library: " + call.group(), List.of("Math.max", "Math.min", "Integer.bitCount",
                "System.arraycopy").contains(call.group()));
        }
        int began = 0;
        String[] lines = text.split("\n");
        for (int i = 0; i < lines.length; i++) {
            if (lines[i].matches("( {4}| {8})(public|private|static|int|void|boolean|[A-Z]\\w*)\\b.*\\) \\{")) {
                began = i;
            } else if (lines[i].matches("( {4}| {8})}")) {
                Due.due("a method of at most sixty lines, up to line " + (i + 1), i - began < 60 || lines[i].length() == 5);
            }
        }
    }
}
