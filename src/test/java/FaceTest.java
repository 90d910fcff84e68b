import java.io.IOException;
import java.lang.reflect.Constructor;
import java.lang.reflect.Field;
import java.lang.reflect.Method;
import java.lang.reflect.Modifier;
import java.nio.file.Files;
import java.nio.file.Path;
import java.util.Set;
import java.util.TreeSet;

/** The public face of the document, and those rules of LANGUAGE.md that can be seen from outside or by words. */
public final class FaceTest {
    private static final String[] FACE = {"int come(int,int,int)", "int leave(int)", "int letAhead(int)",
        "int swap(int)", "int set(int,int)", "int gust(int,int)", "int pass(int)", "int serve()", "int type(char)",
        "int clearText()", "int perform()", "int stopped(int)", "int undo()", "int keep()", "int restore()",
        "int person(int,int)", "int placeOf(int)", "int ifGust(int,int,int,int)", "int reason(int)",
        "int bestSwap(int,int)", "int payer(int)", "int bears(int,int)", "int count(int)"};
    private static final String[] CONSTANTS = {"UNKNOWN=-1", "BAD_VALUE=-2", "FULL=-3", "NOT_POSSIBLE=-4", "NONE=-5",
        "REFUSED=-10"};
    private static final String[] FORBIDDEN = {"throw", "throws", "try", "catch", "finally", "synchronized", "assert",
        "import", "package", "instanceof", "System.out", "->", "::", "float", "double", "Object", "@"};

    public static void main(String[] args) throws IOException, IllegalAccessException {
        face();
        constants();
        membersThatAreNotPublic();
        sizes();
        words();
        Check.end();
    }

    private static void face() {
        Set<String> due = new TreeSet<>(Set.of(FACE));
        Set<String> told = new TreeSet<>();
        for (Method method : UmbrellaQueue.class.getDeclaredMethods()) {
            if (Modifier.isPublic(method.getModifiers())) {
                StringBuilder sign = new StringBuilder(method.getReturnType() + " " + method.getName() + "(");
                String comma = "";
                for (Class<?> type : method.getParameterTypes()) {
                    sign.append(comma).append(type);
                    comma = ",";
                }
                told.add(sign + ")");
            }
        }
        Check.holds("the public methods are " + told, told.equals(due));
        Constructor<?>[] constructors = UmbrellaQueue.class.getDeclaredConstructors();
        Check.due("constructors", constructors.length, 1);
        Check.due("parameters of the constructor", constructors[0].getParameterCount(), 0);
        Check.holds("the constructor is public", Modifier.isPublic(constructors[0].getModifiers()));
        Check.holds("the class is public and final",
            Modifier.isPublic(UmbrellaQueue.class.getModifiers()) && Modifier.isFinal(UmbrellaQueue.class.getModifiers()));
    }

    private static void constants() throws IllegalAccessException {
        Set<String> due = new TreeSet<>(Set.of(CONSTANTS));
        Set<String> told = new TreeSet<>();
        for (Field field : UmbrellaQueue.class.getDeclaredFields()) {
            if (Modifier.isPublic(field.getModifiers())) {
                told.add(field.getName() + "=" + field.getInt(null));
                Check.holds(field + " is static and final",
                    Modifier.isStatic(field.getModifiers()) && Modifier.isFinal(field.getModifiers()));
            }
        }
        Check.holds("the constants are " + told, told.equals(due));
    }

    private static void membersThatAreNotPublic() {
        Set<String> face = new TreeSet<>();
        for (String sign : FACE) {
            face.add(sign.substring(4, sign.indexOf('(')));
        }
        for (Field field : UmbrellaQueue.class.getDeclaredFields()) {
            int modifiers = field.getModifiers();
            Check.holds(field + " is public or private", Modifier.isPublic(modifiers) || Modifier.isPrivate(modifiers));
            Check.holds(field + " is final if static", !Modifier.isStatic(modifiers) || Modifier.isFinal(modifiers));
        }
        for (Method method : UmbrellaQueue.class.getDeclaredMethods()) {
            boolean isPrivate = Modifier.isPrivate(method.getModifiers());
            Check.holds(method + " is public or private", isPrivate || Modifier.isPublic(method.getModifiers()));
            Check.holds(method + " has a name of its own", !isPrivate || !face.contains(method.getName()));
        }
        for (Class<?> inside : UmbrellaQueue.class.getDeclaredClasses()) {
            Check.holds(inside + " is static", Modifier.isStatic(inside.getModifiers()));
            for (Method method : inside.getDeclaredMethods()) {
                Check.holds(method + " has a name of its own", !face.contains(method.getName()));
            }
        }
    }

    private static void sizes() {
        Class<?>[] inside = UmbrellaQueue.class.getDeclaredClasses();
        Check.holds("at most twelve classes", inside.length < 12);
        sizesOf(UmbrellaQueue.class);
        for (Class<?> one : inside) {
            sizesOf(one);
        }
    }

    private static void sizesOf(Class<?> one) {
        int fields = 0;
        for (Field field : one.getDeclaredFields()) {
            fields += Modifier.isStatic(field.getModifiers()) ? 0 : 1;
        }
        Check.holds(one + " has " + fields + " fields", fields <= 20);
        for (Method method : one.getDeclaredMethods()) {
            Check.holds(method + " takes at most seven", method.getParameterCount() <= 7);
        }
    }

    private static void words() throws IOException {
        String source = Files.readString(Path.of("src/main/java/UmbrellaQueue.java"));
        String code = source.replaceAll("(?s)/\\*.*?\\*/", " ").replaceAll("//[^\n]*", " ");
        for (String word : FORBIDDEN) {
            boolean isWord = Character.isLetter(word.charAt(0));
            String pattern = isWord ? "(?s).*\\b" + word.replace(".", "\\.") + "\\b.*" : "(?s).*" + word + ".*";
            Check.holds("the code is without " + word, !code.matches(pattern));
        }
        for (int i = 0; i < source.length(); i++) {
            if (source.charAt(i) > 126) {
                Check.holds("the sign at " + i + " is plain", false);
            }
        }
    }
}
