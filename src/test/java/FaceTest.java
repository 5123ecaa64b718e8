import java.io.IOException;
import java.lang.reflect.Constructor;
import java.lang.reflect.Field;
import java.lang.reflect.Method;
import java.lang.reflect.Modifier;
import java.nio.file.Files;
import java.nio.file.Path;
import java.util.ArrayDeque;
import java.util.Deque;
import java.util.List;
import java.util.Set;
import java.util.TreeSet;
import java.util.regex.Matcher;
import java.util.regex.Pattern;

/** The public face of the document, and those rules of the language that can be seen from outside. */
public final class FaceTest {
    private static final Set<String> METHODS = Set.of(
        "int set(int,int)", "int putIn(int)", "int takeOut(int)", "int shift(int,int)", "int gap(int,int)",
        "int block(int,int)", "int bit(int)", "long bits(int)", "int count(int)", "int at(int,int)", "int find(int,int)",
        "int cost(int,int)", "int with(int,int)", "int best(int)", "int check()", "int put(long)", "int wipe()",
        "int fault()", "int carryOut()", "int undo()", "int save(int)", "int restore(int)");
    private static final Set<String> CONSTANTS =
        Set.of("NO_SUCH", "BAD_VALUE", "BAD_TEXT", "TOO_MANY", "NOT_POSSIBLE", "NONE", "BLOCK", "ONES");
    private static final String[] RULED_OUT = {"throw", "try", "catch", "synchronized", "assert", "import", "package",
        "->", "::", "instanceof", "System", "Object", "equals", "hashCode", "toString", "float", "double"};
    private static int wrong = 0;

    public static void main(String[] args) throws IOException, IllegalAccessException {
        methods();
        members();
        classesInside();
        source(Files.readString(Path.of("src/main/java/RiceBlocks.java")));
        room();
        anyArguments();
        System.out.println(wrong == 0 ? "the face is the document's" : wrong + " things are not the document's");
        if (wrong != 0) {
            System.exit(1);
        }
    }

    private static void due(boolean holds, String text) {
        if (!holds) {
            wrong++;
            System.out.println("not so: " + text);
        }
    }

    private static void methods() {
        Set<String> found = new TreeSet<>();
        Set<String> names = new TreeSet<>();
        for (Method method : RiceBlocks.class.getDeclaredMethods()) {
            if (Modifier.isPublic(method.getModifiers())) {
                String types = "";
                for (Class<?> type : method.getParameterTypes()) {
                    types += types.isEmpty() ? type.getName() : "," + type.getName();
                }
                found.add(method.getReturnType().getName() + " " + method.getName() + "(" + types + ")");
                names.add(method.getName());
            }
        }
        due(found.equals(METHODS), "the public methods are the document's: " + found);
        for (Method method : RiceBlocks.class.getDeclaredMethods()) {
            int modifiers = method.getModifiers();
            due(Modifier.isPublic(modifiers) || Modifier.isPrivate(modifiers), method + " is public or private");
            due(Modifier.isPublic(modifiers) || !names.contains(method.getName()), method + " has a name of its own");
        }
    }

    private static void members() {
        due(Modifier.isFinal(RiceBlocks.class.getModifiers()), "the class is final");
        due(RiceBlocks.class.getPackageName().isEmpty(), "the class has no package");
        Constructor<?>[] constructors = RiceBlocks.class.getDeclaredConstructors();
        due(constructors.length == 1 && constructors[0].getParameterCount() == 0, "there is one constructor");
        Set<String> found = new TreeSet<>();
        int own = 0;
        for (Field field : RiceBlocks.class.getDeclaredFields()) {
            int modifiers = field.getModifiers();
            if (Modifier.isPublic(modifiers)) {
                found.add(field.getName());
                due(Modifier.isFinal(modifiers) && Modifier.isStatic(modifiers), field + " is a constant");
            } else {
                due(Modifier.isPrivate(modifiers), field + " is private");
            }
            own += Modifier.isStatic(modifiers) ? 0 : 1;
            due(!Modifier.isStatic(modifiers) || Modifier.isFinal(modifiers), field + " is final");
        }
        due(found.equals(CONSTANTS), "the constants are the document's: " + found);
        due(own <= 20, "there are at most twenty fields");
    }

    private static void classesInside() {
        Class<?>[] inside = RiceBlocks.class.getDeclaredClasses();
        due(inside.length < 12, "there are at most twelve classes");
        for (Class<?> one : inside) {
            due(Modifier.isStatic(one.getModifiers()), one + " is static");
            due(Modifier.isPrivate(one.getModifiers()), one + " is private");
        }
    }

    private static void source(String source) {
        String bare = source.replaceAll("(?s)/\\*.*?\\*/", "").replaceAll("//[^\n]*", "");
        for (String word : RULED_OUT) {
            String edge = Character.isLetter(word.charAt(0)) ? "\\b" : "";
            Matcher found = Pattern.compile(edge + Pattern.quote(word) + edge).matcher(bare);
            due(!found.find(), "the source has no " + word);
        }
    }

    // RulesTest shows that no call makes anything, so that what a new object holds is all that it ever takes.
    private static void room() throws IllegalAccessException {
        Deque<Object> open = new ArrayDeque<>(List.of(new RiceBlocks()));
        int objects = 0;
        int held = 0;
        while (!open.isEmpty() && objects < 1000) {
            Object one = open.remove();
            objects++;
            held += one instanceof int[] row ? row.length : 0;
            for (Field field : one.getClass().getDeclaredFields()) {
                if (!Modifier.isStatic(field.getModifiers())) {
                    field.setAccessible(true);
                    held++;
                    if (!field.getType().isPrimitive()) {
                        open.add(field.get(one));
                    }
                }
            }
        }
        due(objects <= 40, "an object takes at most 40 objects and arrays: " + objects);
        due(held <= 5000, "an object takes at most 5000 fields and elements: " + held);
    }

    private static void anyArguments() {
        int[] odd = {Integer.MIN_VALUE, Integer.MIN_VALUE + 1, -65537, -65536, -65535, -2, -1, 0, 1, 2, 3, 4, 15, 16, 17, 30, 31,
            63, 64, 65, 1343, 1344, 65535, 65536, Integer.MAX_VALUE - 1, Integer.MAX_VALUE};
        for (int full = 0; full < 2; full++) {
            for (int one : odd) {
                // Two objects, as nothing is promised of one behind its call 512.
                RiceBlocks early = withNumbers(64 * full);
                RiceBlocks late = withNumbers(64 * full);
                for (int i = 0; i < odd.length; i++) {
                    askAndChange(i < odd.length / 2 ? early : late, one, odd[i]);
                }
            }
        }
    }

    private static RiceBlocks withNumbers(int many) {
        RiceBlocks x = new RiceBlocks();
        for (int i = 0; i < many; i++) {
            x.putIn(i * 1000);
        }
        return x;
    }

    private static void askAndChange(RiceBlocks x, int one, int other) {
        x.gap(one, other);
        x.block(one, other);
        x.at(one, other);
        x.find(one, other);
        x.cost(one, other);
        x.with(one, other);
        x.set(one, other);
        x.shift(one, other);
        x.bit(one);
        x.bits(one);
        x.count(one);
        x.best(one);
        x.put((long) one * other);
        x.put(other);
        x.save(other);
        x.restore(one);
        x.putIn(other);
        x.takeOut(one);
        x.carryOut();
        x.undo();
        due(x.check() == 1, "check() holds after calls with " + one + " and " + other);
    }
}
