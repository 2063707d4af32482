import java.io.IOException;
import java.lang.reflect.Constructor;
import java.lang.reflect.Method;
import java.lang.reflect.Modifier;
import java.nio.file.Files;
import java.nio.file.Path;
import java.util.Arrays;
import java.util.Set;
import java.util.TreeSet;
import java.util.regex.Matcher;
import java.util.regex.Pattern;

/** The public face of the document, and those rules of LANGUAGE.md that can be looked up. */
public final class FaceTest {
    private static final Due DUE = new Due("FaceTest");
    private static final String FACE = "int alone(); int behind(int,int,int); int bell(int,int); int busiest(int); "
        + "int comes(int,int); int copy(int,int,int,int,int); int cost(int); int count(int); int days(int,int,int); "
        + "int errands(int,int,int); int feet(int,int,int); int fewest(int,int); int first(); int forAll(); "
        + "int forged(int); int home(int); int hours(int); int hoursOf(int); int image(); int judge(int); "
        + "int keep(int,int,int,int); int marsh(int); int moves(int,int); int nearest(int,int); int never(); "
        + "int oneDoor(int); int put(int,int,int); int restore(); int rings(int); int row(int,int,int); int run(int); "
        + "int soonest(int); int tell(int,int,int); int toss(int); int whatRang(int,int,int); long element(int,int); "
        + "long mean(int); long odds(int,int,int,int)";

    public static void main(String[] args) throws IOException {
        publicFace();
        classesInside();
        words(Files.readString(Path.of("src/main/java/BellThatIsADoor.java")));
        DUE.end();
    }

    private static String signature(Method method) {
        StringBuilder text = new StringBuilder();
        text.append(method.getReturnType().getName()).append(' ').append(method.getName()).append('(');
        for (Class<?> type : method.getParameterTypes()) {
            text.append(text.charAt(text.length() - 1) == '(' ? "" : ",").append(type.getName());
        }
        return text.append(')').toString();
    }

    private static void publicFace() {
        Class<?> face = BellThatIsADoor.class;
        Set<String> due = new TreeSet<>(Arrays.asList(FACE.split("; ")));
        Set<String> names = new TreeSet<>();
        for (Method method : face.getDeclaredMethods()) {
            boolean isPublic = Modifier.isPublic(method.getModifiers());
            if (isPublic) {
                names.add(method.getName());
                DUE.is(signature(method) + " is of the face", due.remove(signature(method)) ? 1 : 0, 1);
            }
            boolean isHidden = Modifier.isPrivate(method.getModifiers()) || method.isSynthetic();
            DUE.is(signature(method) + " is public or private", isPublic || isHidden ? 1 : 0, 1);
            int throwsMany = method.getName().equals("element") ? 2 : 0;
            DUE.is(signature(method) + " tells what it throws", method.getExceptionTypes().length, throwsMany);
        }
        DUE.is("what lacks of the face: " + due, due.size(), 0);
        for (Method method : face.getDeclaredMethods()) {
            boolean bearsOne = Modifier.isPrivate(method.getModifiers()) && names.contains(method.getName());
            DUE.is("a private method bears a public name: " + method.getName(), bearsOne ? 1 : 0, 0);
        }
        Constructor<?>[] made = face.getDeclaredConstructors();
        DUE.is("constructors", made.length, 1);
        DUE.is("its parameters", made[0].getParameterCount(), 0);
        DUE.is("it is public", Modifier.isPublic(made[0].getModifiers()) ? 1 : 0, 1);
        DUE.is("the class is public and final", face.getModifiers(), Modifier.PUBLIC | Modifier.FINAL);
        for (java.lang.reflect.Field field : face.getDeclaredFields()) {
            DUE.is(field.getName() + " is private", Modifier.isPrivate(field.getModifiers()) ? 1 : 0, 1);
        }
    }

    private static void classesInside() {
        Class<?>[] inside = BellThatIsADoor.class.getDeclaredClasses();
        DUE.is("twelve classes at most", inside.length + 1 <= 12 ? 1 : 0, 1);
        for (Class<?> one : inside) {
            boolean isHidden = Modifier.isPrivate(one.getModifiers()) && Modifier.isStatic(one.getModifiers());
            DUE.is(one.getName() + " is private and static", isHidden ? 1 : 0, 1);
        }
    }

    private static void words(String source) {
        String code = source.replaceAll("(?s)/\\*.*?\\*/", "").replaceAll("//[^\n]*", "");
        String[] never = {"\\bimport\\b", "\\bpackage\\b", "@", "->", "::", "\\bfinally\\b", "\\bsynchronized\\b",
            "\\bassert\\b", "\\bNullPointerException\\b", "\\bArithmeticException\\b", "\\bArrayIndexOutOfBounds",
            "\\bIndexOutOfBoundsException\\b", "\\bClassCastException\\b", "\\bNegativeArraySize", "\\bArrayStore",
            "catch \\((Runtime)?Exception\\b", "\\bThrowable\\b", "Exact\\(", "\\bRandom\\b", "currentTimeMillis",
            "nanoTime", "\\bequals\\b", "\\bhashCode\\b", "\\btoString\\b"};
        for (String word : never) {
            Matcher found = Pattern.compile(word).matcher(code);
            DUE.is("the source holds " + word, found.find() ? 1 : 0, 0);
        }
        boolean isPlain = source.chars().allMatch(sign -> sign == '\n' || sign >= ' ' && sign < 127);
        DUE.is("the source holds plain signs alone", isPlain ? 1 : 0, 1);
    }
}
