import java.io.IOException;
import java.util.List;
import java.util.Map;

/** The public face: each line of the document's block, the heads of the promises, the remarks ahead of the calls. */
final class FaceEdges {
    private final Edges e;
    private final Face face = new Face();

    private FaceEdges(Edges e) throws IOException {
        this.e = e;
    }

    static void ask(Edges e) throws IOException {
        FaceEdges edges = new FaceEdges(e);
        edges.theClass();
        edges.methods();
        edges.remarks();
        edges.heads();
    }

    private void theClass() {
        e.says("The public face", "public final class HeadwayDeep {");
        e.sees("the source begins with it", face.isOfSource("public final class HeadwayDeep {"));
        e.sees("it is the document's first line", face.lines().get(0).equals("public final class HeadwayDeep {"));
        e.sees("it is of no package", HeadwayDeep.class.getName().equals("HeadwayDeep"));

        e.says("The public face", "public static final int NONE = -1;");
        e.sees("NONE is -1", HeadwayDeep.NONE == -1);
        e.sees("the source has it", face.isOfSource("public static final int NONE = -1;"));
        e.run("train 100; stopOf 0 = -1");

        e.says("The public face", "public HeadwayDeep();");
        e.sees("one can be made of nothing", new HeadwayDeep().isSafe());
        e.sees("the source has it", face.isOfSource("public HeadwayDeep() {"));
    }

    private void methods() {
        for (String method : face.methods()) {
            e.says("The public face", "public " + method + ";");
            e.sees("the class has it", face.isOfClass(method));
            e.sees("the source has its words", face.isOfSource("public " + method + " {"));
        }
    }

    private void remarks() {
        for (Map.Entry<String, String> sentence : face.sentences().entrySet()) {
            e.says("Terms", sentence.getKey());
            List<String> due = face.callsTold(sentence.getValue());
            e.sees("the document tells it of a call at least", !due.isEmpty());
            e.sees("the source has it ahead of them, in their order",
                face.callsBehind(sentence.getValue()).equals(due));
        }
    }

    private void heads() {
        e.says("Promise 1", "`HeadwayDeep()`:");
        e.sees("the face has it", face.lines().contains("public HeadwayDeep();"));
        List<String> methods = face.methods();
        for (int i = 0; i < methods.size(); i++) {
            e.says("Promise " + (i + 2), "`" + methods.get(i) + "`:");
            e.sees("the class has it", face.isOfClass(methods.get(i)));
        }
    }
}
