import java.io.IOException;
import java.nio.charset.StandardCharsets;
import java.nio.file.Files;
import java.nio.file.Path;

/** For each sentence of the document that names a boundary case a test of its own, which names the sentence. */
public final class EdgeTest {
    private EdgeTest() {
    }

    /** Argument: the document. */
    public static void main(String[] args) throws IOException {
        Edge.read(Files.readString(Path.of(args[0]), StandardCharsets.UTF_8));
        TermEdges.make();
        TextEdges.make();
        AnswerEdges.make();
        SetEdges.make();
        WhatIfEdges.make();
        ChangeEdges.make();
        Edge.nothingLeft();
        Due.end("EdgeTest");
    }
}
