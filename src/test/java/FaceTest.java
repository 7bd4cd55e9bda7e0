import java.io.IOException;
import java.lang.reflect.AnnotatedElement;
import java.lang.reflect.Constructor;
import java.lang.reflect.Field;
import java.lang.reflect.Member;
import java.lang.reflect.Method;
import java.lang.reflect.Modifier;
import java.nio.file.Files;
import java.nio.file.Path;
import java.util.ArrayList;
import java.util.Arrays;
import java.util.HashSet;
import java.util.List;
import java.util.Set;
import java.util.stream.Collectors;

/** The section "The public face" of the document, and what LANGUAGE.md says of members, fields and sizes. */
public final class FaceTest {
    // as the document has it
    private static final String FACE = """
        public static final int PARSE_ERROR = -7;
        public NoonCry();
        public int append(int a, int b, int c, int d, int e) throws IllegalStateException;
        public int truncate(int length) throws IllegalArgumentException;
        public int load();
        public int errorCode();
        public int errorOffset();
        public int minute();
        public int lastPrice();
        public int band();
        public int rule();
        public int minutesToCry();
        public int traderCount();
        public int coinsOf(int trader) throws IndexOutOfBoundsException;
        public int goodsOf(int trader) throws IndexOutOfBoundsException;
        public int freeCoins(int trader) throws IndexOutOfBoundsException;
        public int freeGoods(int trader) throws IndexOutOfBoundsException;
        public int orderCount();
        public int orderAt(int index) throws IndexOutOfBoundsException;
        public int traderOf(int order) throws NoSuchElementException;
        public int sideOf(int order) throws NoSuchElementException;
        public int limitOf(int order) throws NoSuchElementException;
        public int quantityOf(int order) throws NoSuchElementException;
        public int minutesLeft(int order) throws NoSuchElementException;
        public int rankOf(int order) throws NoSuchElementException;
        public int demandAt(int price) throws IllegalArgumentException;
        public int supplyAt(int price) throws IllegalArgumentException;
        public int volumeAt(int price) throws IllegalArgumentException;
        public int excessAt(int price) throws IllegalArgumentException;
        public int bestBid();
        public int bestOffer();
        public int cryPrice();
        public int cryVolume();
        public boolean wouldStop();
        public int fillOf(int order) throws NoSuchElementException;
        public int partialFills();
        public int lastLimit(int side) throws IllegalArgumentException;
        public int priceWithout(int order) throws NoSuchElementException;
        public int volumeWithout(int order) throws NoSuchElementException;
        public int priceWith(int side, int limit, int quantity) throws IllegalArgumentException;
        public int fillWith(int side, int limit, int quantity) throws IllegalArgumentException;
        public int priceToBuy(int quantity) throws IllegalArgumentException;
        public int priceToSell(int quantity) throws IllegalArgumentException;
        public int orderRefusal(int trader, int side, int limit, int quantity) throws IndexOutOfBoundsException, IllegalArgumentException;
        public int worthOf(int order) throws NoSuchElementException;
        public int coinsAfterCry(int trader) throws IndexOutOfBoundsException;
        public int tradedPieces();
        public int goodCries();
        public int stoppedCries();
        public int lateOrders();
        public int coinDifference();
        public int goodDifference();
        public float tradedShare();
        public double meanPrice();
        public int place(int trader, int side, int limit, int quantity, int minutes) throws IndexOutOfBoundsException, IllegalArgumentException, IllegalStateException;
        public int withdraw(int order) throws NoSuchElementException;
        public int setRule(int rule) throws IllegalArgumentException;
        public int setBand(int band) throws IllegalArgumentException;
        public int pay(int trader, int coins) throws IndexOutOfBoundsException, IllegalArgumentException, IllegalStateException;
        public int cry();
        public int pass(int minutes) throws IllegalArgumentException;
        public int save(int slot) throws IndexOutOfBoundsException;
        public int restore(int slot) throws IndexOutOfBoundsException, IllegalStateException;
        public int undo() throws IllegalStateException;
        public int printSide(int side) throws IllegalArgumentException;
        public int outputByte(int index) throws NoSuchElementException;
        """;

    private static final Check check = new Check("FaceTest");

    public static void main(String[] args) throws IOException {
        String source = Files.readString(Path.of("src/main/java/NoonCry.java"));
        theClass(source);
        theFace(source);
        nothingMore();
        classesInside();
        privateNames();
        staticFields();
        sizes();
        check.finish();
    }

    private static void theClass(String source) {
        check.sentence("The public face: public final class NoonCry");
        check.same("modifiers", NoonCry.class.getModifiers(), Modifier.PUBLIC | Modifier.FINAL);
        check.sameText("package", NoonCry.class.getPackageName(), "");
        check.sameText("super class", NoonCry.class.getSuperclass().getName(), "java.lang.Object");
        check.same("interfaces", NoonCry.class.getInterfaces().length, 0);
        check.sameText("imports", source.lines().filter(line -> line.startsWith("import ")).collect(Collectors.joining()),
            "import java.util.NoSuchElementException;");
        check.sentence("The constants: PARSE_ERROR is -7");
        check.same("PARSE_ERROR", NoonCry.PARSE_ERROR, -7);
    }

    private static void theFace(String source) {
        check.sentence("The public face: names, parameters, results, exceptions");
        String folded = source.replaceAll("\\s+", " ");
        List<String> members = publicMembers();
        for (String line : FACE.lines().collect(Collectors.toList())) {
            String form = line.substring(0, line.length() - 1);
            check.isTrue("source of " + line, folded.contains(form + (line.contains("(") ? " {" : ";")));
            check.isTrue("member of " + line, members.contains(withoutNames(form)));
        }
        check.same("members of the face", FACE.lines().count(), 66);
        check.same("public members", members.size(), 66);
    }

    /** A line of the face as reflection can tell it: without the parameters' names and the constant's value. */
    private static String withoutNames(String form) {
        return form.replaceAll("int \\w+(?=[,)])", "int").replaceAll(" = -?\\d+", "");
    }

    private static List<String> publicMembers() {
        List<String> members = new ArrayList<>();
        for (AnnotatedElement member : allMembers(NoonCry.class)) {
            if (Modifier.isPublic(((Member) member).getModifiers())) {
                String form = member.toString().replace("NoonCry.", "").replace("java.lang.", "").replace("java.util.", "");
                members.add(form.replace(",", ", ").replaceAll(",\\s+", ", "));
            }
        }
        return members;
    }

    private static List<AnnotatedElement> allMembers(Class<?> one) {
        List<AnnotatedElement> all = new ArrayList<>();
        all.addAll(List.of(one.getDeclaredFields()));
        all.addAll(List.of(one.getDeclaredConstructors()));
        all.addAll(List.of(one.getDeclaredMethods()));
        return all;
    }

    private static void nothingMore() {
        check.sentence("Rule 1: no other public, protected or package-visible member");
        for (AnnotatedElement member : allMembers(NoonCry.class)) {
            int modifiers = ((Member) member).getModifiers();
            check.isTrue("public or private: " + member, Modifier.isPublic(modifiers) || Modifier.isPrivate(modifiers));
        }
        for (Field field : NoonCry.class.getDeclaredFields()) {
            check.isTrue("final: " + field, Modifier.isFinal(field.getModifiers()));
        }
    }

    private static void classesInside() {
        check.sentence("Rule 1: the classes inside are private or package-visible and static");
        for (Class<?> inside : NoonCry.class.getDeclaredClasses()) {
            int modifiers = inside.getModifiers();
            check.isFalse("public: " + inside, Modifier.isPublic(modifiers) || Modifier.isProtected(modifiers));
            check.isTrue("static: " + inside, Modifier.isStatic(modifiers));
        }
    }

    private static List<Class<?>> allClasses() {
        List<Class<?>> all = new ArrayList<>(Arrays.asList(NoonCry.class.getDeclaredClasses()));
        all.add(NoonCry.class);
        return all;
    }

    private static void privateNames() {
        check.sentence("Rule 1: no private method bears the name of a public one");
        Set<String> names = new HashSet<>();
        for (Method method : NoonCry.class.getDeclaredMethods()) {
            if (Modifier.isPublic(method.getModifiers())) {
                check.isTrue("only one " + method.getName(), names.add(method.getName()));
            }
        }
        for (Class<?> one : allClasses()) {
            for (Method method : one.getDeclaredMethods()) {
                boolean named = !Modifier.isPublic(method.getModifiers()) && names.contains(method.getName());
                check.isFalse("name of the face: " + method, named);
            }
        }
    }

    private static void staticFields() {
        check.sentence("Rule 5: static fields are final constants");
        Set<Class<?>> kinds = Set.of(int.class, long.class, boolean.class, char.class, String.class);
        for (Class<?> one : allClasses()) {
            for (Field field : one.getDeclaredFields()) {
                if (Modifier.isStatic(field.getModifiers())) {
                    check.isTrue("final: " + field, Modifier.isFinal(field.getModifiers()));
                    check.isTrue("a constant: " + field, kinds.contains(field.getType()));
                }
            }
        }
    }

    private static void sizes() {
        check.sentence("Rule 11: seven parameters, twelve classes, twenty fields");
        check.isTrue("classes", allClasses().size() <= 12);
        for (Class<?> one : allClasses()) {
            long fields = Arrays.stream(one.getDeclaredFields()).filter(field -> !Modifier.isStatic(field.getModifiers())).count();
            check.isTrue("fields of " + one, fields <= 20);
            for (Method method : one.getDeclaredMethods()) {
                check.isTrue("parameters of " + method, method.getParameterCount() <= 7);
            }
            for (Constructor<?> made : one.getDeclaredConstructors()) {
                check.isTrue("parameters of " + made, made.getParameterCount() <= 7);
            }
        }
    }
}
