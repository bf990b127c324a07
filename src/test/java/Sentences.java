import java.io.IOException;
import java.nio.file.Files;
import java.nio.file.Path;
import java.util.ArrayList;
import java.util.HashSet;
import java.util.IdentityHashMap;
import java.util.LinkedHashMap;
import java.util.List;
import java.util.Map;
import java.util.Objects;
import java.util.Set;
import java.util.function.Function;
import java.util.function.Supplier;
import java.util.regex.Matcher;
import java.util.regex.Pattern;

/**
 * The sentences of the document's sections and promises, and the checks that hold the program to each of them. A
 * sentence that no check stands under is told as wrong, so that none can be passed over.
 */
final class Sentences {
    private static final Pattern PROMISE = Pattern.compile("## Promise (\\d+): .*");
    private static final Pattern SECTION = Pattern.compile("(\\d)\\. [A-Z].*[a-z]");
    private static final Pattern OWN_PARAGRAPH = Pattern.compile("(- |\\d: |[a-z]+ = |----).*");

    private final Map<String, List<String>> chapters = new LinkedHashMap<>();
    private final Set<String> begun = new HashSet<>();
    private final Map<Supplier<VendingRoutes>, String> untouched = new IdentityHashMap<>();
    private String present = "";
    private int checksOfPresent = 1;
    private int checks = 0;
    private int wrong = 0;

    Sentences(Path document) throws IOException {
        String chapter = "";
        StringBuilder paragraph = new StringBuilder();
        boolean isCode = false;
        for (String line : Files.readAllLines(document)) {
            boolean isFence = line.startsWith("```");
            Matcher promise = PROMISE.matcher(line);
            Matcher section = SECTION.matcher(line);
            boolean isHead = line.startsWith("#") || section.matches();
            if (isFence || isHead || line.isBlank() || OWN_PARAGRAPH.matcher(line).matches()) {
                endParagraph(chapter, paragraph);
            }
            isCode ^= isFence;
            if (isHead) {
                chapter = promise.matches() ? "promise " + promise.group(1)
                        : section.matches() ? "section " + section.group(1) : "";
            } else if (!isCode && !isFence && !line.isBlank()) {
                paragraph.append(paragraph.length() > 0 ? " " : "").append(line.strip());
            }
        }
        endParagraph(chapter, paragraph);
    }

    private void endParagraph(String chapter, StringBuilder paragraph) {
        if (paragraph.length() > 0 && !chapter.isEmpty()) {
            List<String> sentences = chapters.computeIfAbsent(chapter, c -> new ArrayList<>());
            sentences.addAll(List.of(paragraph.toString().split("(?<=[.]) (?=[A-Z(])")));
        }
        paragraph.setLength(0);
    }

    /** What follows is checked for these sentences of a chapter; a sentence is named by its beginning. */
    void of(String chapter, String... beginnings) {
        endPresent();
        for (String beginning : beginnings) {
            begun.add(chapter + ": " + sentence(chapter, beginning));
        }
        present = chapter + ": " + beginnings[0];
        checksOfPresent = 0;
    }

    /** Sentences that name no case: headings and the like. */
    void tellsNothing(String chapter, String... beginnings) {
        for (String beginning : beginnings) {
            begun.add(chapter + ": " + sentence(chapter, beginning));
        }
    }

    private String sentence(String chapter, String beginning) {
        List<String> all = chapters.getOrDefault(chapter, List.of());
        List<String> found = all.contains(beginning) ? List.of(beginning)
                : all.stream().filter(sentence -> sentence.startsWith(beginning)).toList();
        if (found.size() != 1) {
            wrong++;
            System.out.println(found.size() + " sentences of " + chapter + " begin with: " + beginning);
            return "";
        }
        return found.get(0);
    }

    private void endPresent() {
        if (checksOfPresent == 0) {
            wrong++;
            System.out.println("no check stands under " + present);
        }
    }

    void is(Object answer, Object due) {
        checks++;
        checksOfPresent++;
        if (!Objects.equals(answer, due)) {
            wrong++;
            System.out.println(present + "\n    answered " + answer + "\n    due is   " + due + "\n    at " + place());
        }
    }

    private static String place() {
        return StackWalker.getInstance().walk(frames -> frames
                .filter(frame -> !frame.getClassName().startsWith("Sentences"))
                .map(StackWalker.StackFrame::toString).findFirst().orElse(""));
    }

    /** The exception must come from a throw statement of the program, not from the machine or the library. */
    void fails(Class<?> due, Runnable call) {
        Object thrown = "nothing thrown";
        try {
            call.run();
        } catch (RuntimeException e) {
            StackTraceElement[] trace = e.getStackTrace();
            boolean isOwn = trace.length > 0 && trace[0].getClassName().matches("VendingRoutes([$].*)?");
            thrown = isOwn ? e.getClass() : "not of its own: " + e;
        }
        is(thrown, due);
    }

    /** A call that fails, and behind which the object is as one on which it was not made. */
    void refuses(Supplier<VendingRoutes> maker, Class<?> due, Function<VendingRoutes, Object> call) {
        VendingRoutes x = maker.get();
        fails(due, () -> call.apply(x));
        changesNothing(maker, x);
    }

    /** A call that answers, and behind which the object is as one on which it was not made. */
    void asks(Supplier<VendingRoutes> maker, Object due, Function<VendingRoutes, Object> call) {
        VendingRoutes x = maker.get();
        is(call.apply(x), due);
        changesNothing(maker, x);
    }

    private void changesNothing(Supplier<VendingRoutes> maker, VendingRoutes x) {
        String due = untouched.computeIfAbsent(maker, m -> Snapshot.of(m.get()));
        is(Snapshot.of(x), due);
    }

    /** Tells the sentences that were passed over; answers how much is wrong. */
    int end() {
        endPresent();
        int sentences = 0;
        for (Map.Entry<String, List<String>> chapter : chapters.entrySet()) {
            for (String sentence : chapter.getValue()) {
                // The signatures are held by FaceTest.
                boolean isSignature = chapter.getKey().startsWith("promise") && sentence.startsWith("`");
                sentences += isSignature ? 0 : 1;
                if (!isSignature && !begun.contains(chapter.getKey() + ": " + sentence)) {
                    wrong++;
                    System.out.println("passed over, " + chapter.getKey() + ": " + sentence);
                }
            }
        }
        System.out.println(sentences + " sentences, " + checks + " checks, " + wrong + " wrong");
        return wrong;
    }
}
