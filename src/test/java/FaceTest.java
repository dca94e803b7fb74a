import java.lang.reflect.Constructor;
import java.lang.reflect.Field;
import java.lang.reflect.Member;
import java.lang.reflect.Method;
import java.lang.reflect.Modifier;
import java.util.ArrayList;
import java.util.Collections;
import java.util.HashSet;
import java.util.List;
import java.util.Set;

/** The public face, as the document writes it, and the rules of LANGUAGE.md that it shows. */
public final class FaceTest {
    private static final String STATE = "java.lang.IllegalStateException";
    private static final String ARGUMENT = "java.lang.IllegalArgumentException";
    private static final String INDEX = "java.lang.IndexOutOfBoundsException";
    private static final String ELEMENT = "java.util.NoSuchElementException";

    private static final String[] FACE = {
        "public boolean RankedTrees.write(long)",
        "public void RankedTrees.wipe()",
        "public int RankedTrees.load()",
        "public int RankedTrees.rules()",
        "public int RankedTrees.rule(int,int) throws " + INDEX + "," + ARGUMENT,
        "public int RankedTrees.token(char) throws " + ARGUMENT + "," + STATE,
        "public int RankedTrees.drop()",
        "public long RankedTrees.trees() throws " + STATE,
        "public long RankedTrees.ways(char,int,int) throws " + STATE + "," + ARGUMENT + "," + INDEX,
        "public int RankedTrees.weight(int) throws " + STATE + "," + ARGUMENT + "," + ELEMENT,
        "public int RankedTrees.size(int) throws " + STATE + "," + ARGUMENT + "," + ELEMENT,
        "public int RankedTrees.at(int,int,int) throws " + STATE + "," + ARGUMENT + "," + ELEMENT
            + "," + INDEX,
        "public RankedTrees()",
        "public static final int RankedTrees.ROUND",
    };

    public static void main(String[] args) {
        String modifiers = Modifier.toString(RankedTrees.class.getModifiers());
        Check.text("modifiers", modifiers, "public final");
        Check.same("ROUND", RankedTrees.ROUND, -1000);
        theFaceAndNoMore();
        classesInside();
        Check.end();
    }

    private static void theFaceAndNoMore() {
        List<String> got = new ArrayList<>();
        for (Method method : RankedTrees.class.getDeclaredMethods()) {
            addIfSeen(got, method, method.toString());
        }
        for (Constructor<?> constructor : RankedTrees.class.getDeclaredConstructors()) {
            addIfSeen(got, constructor, constructor.toString());
        }
        for (Field field : RankedTrees.class.getDeclaredFields()) {
            addIfSeen(got, field, field.toString());
        }
        List<String> want = new ArrayList<>(List.of(FACE));
        Collections.sort(got);
        Collections.sort(want);
        Check.text("the face", got.toString(), want.toString());
    }

    private static void addIfSeen(List<String> seen, Member member, String text) {
        if (!Modifier.isPrivate(member.getModifiers()) && !member.isSynthetic()) {
            seen.add(text);
        }
    }

    private static void classesInside() {
        checkNames(RankedTrees.class);
        for (Class<?> inside : RankedTrees.class.getDeclaredClasses()) {
            Check.holds(inside + " is static", Modifier.isStatic(inside.getModifiers()));
            Check.fails(inside + " is public", Modifier.isPublic(inside.getModifiers()));
            Check.fails(inside + " is protected", Modifier.isProtected(inside.getModifiers()));
            checkNames(inside);
            checkFields(inside);
        }
        checkFields(RankedTrees.class);
    }

    private static void checkNames(Class<?> where) {
        Set<String> names = new HashSet<>();
        for (Method method : RankedTrees.class.getDeclaredMethods()) {
            if (Modifier.isPublic(method.getModifiers())) {
                names.add(method.getName());
            }
        }
        for (Method method : where.getDeclaredMethods()) {
            if (Modifier.isPrivate(method.getModifiers())) {
                Check.fails(method + " has a public name", names.contains(method.getName()));
            }
        }
    }

    private static void checkFields(Class<?> where) {
        for (Field field : where.getDeclaredFields()) {
            int modifiers = field.getModifiers();
            Check.holds(field + " is no static state",
                    !Modifier.isStatic(modifiers) || Modifier.isFinal(modifiers));
        }
    }
}
