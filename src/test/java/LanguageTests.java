import java.lang.reflect.Array;
import java.lang.reflect.Constructor;
import java.lang.reflect.Field;
import java.lang.reflect.Method;
import java.lang.reflect.Modifier;
import java.util.ArrayDeque;
import java.util.ArrayList;
import java.util.Arrays;
import java.util.Collections;
import java.util.Deque;
import java.util.IdentityHashMap;
import java.util.List;
import java.util.Set;
import java.util.TreeSet;
import java.util.stream.Collectors;

/** The public face of the document, what LANGUAGE.md says of classes and members, and the room that an object takes. */
public final class LanguageTests {
    private static final int MOST_PARAMETERS = 7;
    private static final int MOST_FIELDS = 20;
    private static final int MOST_CLASSES = 12;
    /** About a thousandth of the 600,000 objects, and of the 7.3 million fields and elements, that a run has room for. */
    private static final int MOST_OBJECTS = 610;
    private static final int MOST_CELLS = 7300;

    private static final String[] FACE = {"int addInvestor(int)", "int deposit(int,int)", "int setPoolShare(int)",
        "int openLoan(int,int,int)", "int fund(int,int,boolean,int)", "int giveUp(int)", "int pay(int,int)",
        "int cure(int,int)", "int sell(int,int)", "int switchServicer(int,int)", "int sellNote(int,int,int)",
        "int pass(int)", "int type(char)", "int clearText()", "int readFundings()", "int undo()", "int keep()",
        "int restore()", "int investor(int,int)", "int loan(int,int)", "int note(int,int)", "int split(int,int,int)",
        "int toRepay(int)", "int servicer(int,int)", "int count(int)"};
    private static final String[] CONSTANTS = {"UNKNOWN", "BAD_VALUE", "FULL", "NOT_POSSIBLE", "NONE"};

    private static int wrong = 0;

    private static void due(String what, boolean holds) {
        if (!holds) {
            wrong++;
            System.out.println("not as due: " + what);
        }
    }

    public static void main(String[] args) throws IllegalAccessException {
        face();
        members();
        room();
        System.out.println(wrong == 0 ? "the class keeps to its face and language" : wrong + " faults");
        if (wrong != 0) {
            System.exit(1);
        }
    }

    private static String face(Method method) {
        return method.getReturnType().getName() + " " + method.getName() + "("
            + Arrays.stream(method.getParameterTypes()).map(Class::getName).collect(Collectors.joining(",")) + ")";
    }

    private static void face() {
        Class<?> type = PeerNotes.class;
        due("the class is public and final", Modifier.isPublic(type.getModifiers()) && Modifier.isFinal(type.getModifiers()));
        Set<String> methods = new TreeSet<>();
        for (Method method : type.getDeclaredMethods()) {
            if (!Modifier.isPrivate(method.getModifiers())) {
                methods.add(face(method));
                due(method + " is public and not static",
                    Modifier.isPublic(method.getModifiers()) && !Modifier.isStatic(method.getModifiers()));
            }
        }
        due("methods of the face: " + methods, methods.equals(new TreeSet<>(Arrays.asList(FACE))));
        Set<String> fields = new TreeSet<>();
        for (Field field : type.getDeclaredFields()) {
            if (!Modifier.isPrivate(field.getModifiers())) {
                fields.add(field.getName());
                due(field + " is a public static final int", field.getType() == int.class
                    && field.getModifiers() == (Modifier.PUBLIC | Modifier.STATIC | Modifier.FINAL));
            }
        }
        due("constants of the face: " + fields, fields.equals(new TreeSet<>(Arrays.asList(CONSTANTS))));
        Constructor<?>[] constructors = type.getDeclaredConstructors();
        due("one public constructor without parameters", constructors.length == 1
            && constructors[0].getParameterCount() == 0 && Modifier.isPublic(constructors[0].getModifiers()));
    }

    private static void members() {
        Set<String> publicNames = Arrays.stream(FACE).map(row -> row.substring(4, row.indexOf('(')))
            .collect(Collectors.toSet());
        List<Class<?>> classes = new ArrayList<>(List.of(PeerNotes.class.getDeclaredClasses()));
        due("classes: " + (classes.size() + 1), classes.size() < MOST_CLASSES);
        for (Class<?> inside : classes) {
            due(inside + " is static and not public", Modifier.isStatic(inside.getModifiers())
                && !Modifier.isPublic(inside.getModifiers()) && !Modifier.isProtected(inside.getModifiers()));
            for (Method method : inside.getDeclaredMethods()) {
                due(method + " bears a public method's name", !publicNames.contains(method.getName()));
            }
        }
        classes.add(PeerNotes.class);
        for (Class<?> each : classes) {
            int fields = 0;
            for (Field field : each.getDeclaredFields()) {
                if (Modifier.isStatic(field.getModifiers())) {
                    due(field + " is final", Modifier.isFinal(field.getModifiers()));
                } else {
                    fields++;
                }
            }
            due(each + " has " + fields + " fields", fields <= MOST_FIELDS);
            for (Method method : each.getDeclaredMethods()) {
                due(method + " has few parameters", method.getParameterCount() <= MOST_PARAMETERS);
                due(method + ": a private method bears a public one's name", each != PeerNotes.class
                    || Modifier.isPublic(method.getModifiers()) || !publicNames.contains(method.getName()));
            }
        }
    }

    /** An object and all that it holds, when it is new and when its calls are over: none of them is to make more. */
    private static void room() throws IllegalAccessException {
        PeerNotes market = new PeerNotes();
        int[] first = measured(market);
        due("objects of a new market: " + first[0], first[0] > 0 && first[0] <= MOST_OBJECTS);
        due("fields and elements of a new market: " + first[1], first[1] > 0 && first[1] <= MOST_CELLS);
        fill(market);
        due("a market that was used is as great as a new one", Arrays.equals(measured(market), first));
    }

    private static void fill(PeerNotes market) {
        market.addInvestor(100000);
        for (int i = 0; i < 10; i++) {
            market.openLoan(1000, 50, 10);
            market.keep();
            for (int note = 0; note < 5; note++) {
                market.fund(0, i, note % 2 == 0, 200);
            }
        }
        for (int i = 0; i < 10; i++) {
            market.pass(1);
            market.pay(i, 123);
        }
        for (char sign : "0>1s5;0>2j6".toCharArray()) {
            market.type(sign);
        }
        market.readFundings();
        market.sell(9, 700);
        market.undo();
        market.restore();
        market.giveUp(9);
    }

    /** The objects and arrays that can be reached, and their fields and elements together. */
    private static int[] measured(PeerNotes market) throws IllegalAccessException {
        Set<Object> seen = Collections.newSetFromMap(new IdentityHashMap<>());
        Deque<Object> open = new ArrayDeque<>(List.of(market));
        int cells = 0;
        while (!open.isEmpty()) {
            Object each = open.pop();
            if (seen.add(each)) {
                List<Object> parts = new ArrayList<>();
                cells += partsOf(each, parts);
                open.addAll(parts);
            }
        }
        return new int[] {seen.size(), cells};
    }

    private static int partsOf(Object each, List<Object> parts) throws IllegalAccessException {
        if (each.getClass().isArray()) {
            if (!each.getClass().getComponentType().isPrimitive()) {
                parts.addAll(Arrays.asList((Object[]) each));
            }
            return Array.getLength(each);
        }
        int fields = 0;
        for (Field field : each.getClass().getDeclaredFields()) {
            if (!Modifier.isStatic(field.getModifiers())) {
                fields++;
                field.setAccessible(true);
                if (!field.getType().isPrimitive()) {
                    parts.add(field.get(each));
                }
            }
        }
        return fields;
    }
}
