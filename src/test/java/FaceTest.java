import java.lang.reflect.Constructor;
import java.lang.reflect.Field;
import java.lang.reflect.Method;
import java.lang.reflect.Modifier;
import java.util.Set;
import java.util.TreeSet;

/** The class shows the document's face and nothing else, and holds no state outside its objects. */
public final class FaceTest {
    private static final String[] FACE = {
        "public static final int BAD", "public static final int NO", "public static final int FULL",
        "public ReportCauses()",
        "public int ReportCauses.triple(int,int,int)", "public int ReportCauses.drop(int,int,int)",
        "public int ReportCauses.rule(int,int,int,int)", "public int ReportCauses.results()",
        "public int ReportCauses.result(int)", "public int ReportCauses.isOf(int,int)",
        "public int ReportCauses.reason(int,int,int)",
        "public int ReportCauses.change(boolean,int,int,int,int)",
        "public int ReportCauses.suggest(int,int)", "public int ReportCauses.clear()",
        "public int ReportCauses.tries(int)", "public int ReportCauses.find(int,int,int)",
        "public boolean ReportCauses.settled()", "public int ReportCauses.tried()",
        "public int ReportCauses.set(int,int)", "public int ReportCauses.weight(int)",
        "public int ReportCauses.breaks(int,int)", "public int ReportCauses.apply(int)",
        "public int ReportCauses.cover(int)", "public int ReportCauses.covered(int)",
        "public int ReportCauses.sentence(int)", "public int ReportCauses.letter(int)"};

    public static void main(String[] args) {
        Set<String> shown = new TreeSet<>();
        Set<String> wrong = new TreeSet<>();
        Class<?> face = ReportCauses.class;
        if (face.getModifiers() != (Modifier.PUBLIC | Modifier.FINAL)) {
            wrong.add("the class is not public final");
        }
        for (Field f : face.getDeclaredFields()) {
            if (!Modifier.isPrivate(f.getModifiers())) {
                shown.add(Modifier.toString(f.getModifiers()) + " " + f.getType() + " " + f.getName());
            }
        }
        for (Constructor<?> c : face.getDeclaredConstructors()) {
            shown.add(c.toString());
        }
        for (Method m : face.getDeclaredMethods()) {
            if (!Modifier.isPrivate(m.getModifiers())) {
                shown.add(m.toString());
            }
        }
        checkNames(face, wrong);
        checkStatics(face, wrong);
        for (Class<?> inside : face.getDeclaredClasses()) {
            checkStatics(inside, wrong);
            if (!Modifier.isStatic(inside.getModifiers()) || Modifier.isPublic(inside.getModifiers())) {
                wrong.add(inside + " is not static, or is public");
            }
        }
        compare(shown, wrong);
        if (ReportCauses.BAD != -1 || ReportCauses.NO != -2 || ReportCauses.FULL != -3) {
            wrong.add("a constant is not as due");
        }
        for (String line : wrong) {
            System.out.println(line);
        }
        System.out.println(wrong.isEmpty() ? "the face is as due" : "the face is not as due");
        if (!wrong.isEmpty()) {
            System.exit(1);
        }
    }

    private static void compare(Set<String> shown, Set<String> wrong) {
        Set<String> due = new TreeSet<>();
        for (String member : FACE) {
            due.add(member);
            if (!shown.contains(member)) {
                wrong.add("missing: " + member);
            }
        }
        for (String member : shown) {
            if (!due.contains(member)) {
                wrong.add("not of the face: " + member);
            }
        }
    }

    private static void checkNames(Class<?> face, Set<String> wrong) {
        Set<String> open = new TreeSet<>();
        for (Method m : face.getMethods()) {
            open.add(m.getName());
        }
        for (Method m : face.getDeclaredMethods()) {
            if (Modifier.isPrivate(m.getModifiers()) && open.contains(m.getName())) {
                wrong.add("private, with a public name: " + m);
            }
        }
    }

    private static void checkStatics(Class<?> some, Set<String> wrong) {
        for (Field f : some.getDeclaredFields()) {
            if (Modifier.isStatic(f.getModifiers()) && !Modifier.isFinal(f.getModifiers())) {
                wrong.add("static and not final: " + f);
            }
        }
    }
}
