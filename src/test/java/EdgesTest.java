import java.io.IOException;

/**
 * Each sentence of the document that names an edge (too small, too large, empty, full, the first and
 * the last, a refused call) with a test of its own. The sentences are told word for word, and it is
 * looked at whether each word of the terms and of the promises has been told.
 */
public final class EdgesTest {
    public static void main(String[] args) throws IOException {
        Doc.read();
        TermsEdges.all();
        LakeEdges.all();
        PolesEdges.all();
        WhatIfEdges.all();
        WaterRingsEdges.all();
        FindsSlotsEdges.all();
        Doc.allSaid();
        Due.end();
    }
}
